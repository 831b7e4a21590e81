section LINKS
variable {p : Program} {l : Launch} {e : Env} {R : Room} {s : State} {m : MethodId} {args : Array Value} {below : List Frame} {meth : Method} {c : Code} {H H0 : Heap} {locs : List Loc} {cells slots : Nat} {Q : State → Prop} {cc : ByteArray} {pc : Nat} {ls : Array Slot} {rest : List Value} {g : GE} {ws : va_W} {A : Nat → Prop} {a : Nat} {fs : List Value}
set_option maxRecDepth 100000 in
theorem cf_L_follows : CF yL_follows cL_follows 22 (some .boolean) 2 := ⟨mTB 957 rfl (by decide +kernel), mTB 22 (by decide +kernel) (by decide +kernel), by decide +kernel, by decide +kernel, by decide +kernel⟩
set_option maxRecDepth 100000 in
theorem cf_L_kept : CF yL_kept cL_kept 18 (some .boolean) 2 := ⟨mTB 922 rfl (by decide +kernel), mTB 22 (by decide +kernel) (by decide +kernel), by decide +kernel, by decide +kernel, by decide +kernel⟩
end LINKS
