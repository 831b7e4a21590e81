section LINKS
variable {p : Program} {l : Launch} {e : Env} {R : Room} {s : State} {m : MethodId} {args : Array Value} {below : List Frame} {meth : Method} {c : Code} {H H0 : Heap} {locs : List Loc} {cells slots : Nat} {Q : State → Prop} {cc : ByteArray} {pc : Nat} {ls : Array Slot} {rest : List Value} {g : GE} {ws : va_W} {A : Nat → Prop} {a : Nat} {fs : List Value}
set_option maxRecDepth 100000 in
theorem cf_L_follows : CF yL_follows cL_follows 22 (some .boolean) 2 := ⟨mTB 957 rfl (by decide +kernel), mTB 22 (by decide +kernel) (by decide +kernel), by decide +kernel, by decide +kernel, by decide +kernel⟩
set_option maxRecDepth 100000 in
theorem cf_L_kept : CF yL_kept cL_kept 18 (some .boolean) 2 := ⟨mTB 922 rfl (by decide +kernel), mTB 22 (by decide +kernel) (by decide +kernel), by decide +kernel, by decide +kernel, by decide +kernel⟩
set_option maxRecDepth 100000 in
theorem cf_L_errors : CF yL_errors cL_errors 6 (some .boolean) 1 := ⟨mTB 412 rfl (by decide +kernel), mTB 22 (by decide +kernel) (by decide +kernel), by decide +kernel, by decide +kernel, by decide +kernel⟩
set_option maxRecDepth 100000 in
theorem cf_L_act : CF yL_act cL_act 8 (some .long) 3 := ⟨mTB 1020 rfl (by decide +kernel), mTB 22 (by decide +kernel) (by decide +kernel), by decide +kernel, by decide +kernel, by decide +kernel⟩
set_option maxRecDepth 100000 in
theorem cf_L_told : CF yL_told cL_told 6 (some .long) 2 := ⟨mTB 1023 rfl (by decide +kernel), mTB 22 (by decide +kernel) (by decide +kernel), by decide +kernel, by decide +kernel, by decide +kernel⟩
set_option maxRecDepth 100000 in
theorem cf_L_alike : CF yL_alike cL_alike 2 (some .boolean) 2 := ⟨mTB 1005 rfl (by decide +kernel), mTB 22 (by decide +kernel) (by decide +kernel), by decide +kernel, by decide +kernel, by decide +kernel⟩
end LINKS
