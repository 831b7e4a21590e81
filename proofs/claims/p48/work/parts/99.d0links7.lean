section LINKS
variable {p : Program} {l : Launch} {e : Env} {R : Room} {s : State} {m : MethodId} {args : Array Value} {below : List Frame} {meth : Method} {c : Code} {H H0 : Heap} {locs : List Loc} {cells slots : Nat} {Q : State → Prop} {cc : ByteArray} {pc : Nat} {ls : Array Slot} {rest : List Value} {g : GE} {ws : va_W} {A : Nat → Prop} {a : Nat} {fs : List Value}
theorem cl_L_10 : Cond.classLink "HallGuardsLaw" 10 "HallGuards" ∈ TB := mTB 41 (by decide +kernel) (by decide +kernel)
theorem ins_X8 : Cond.instantiable "HallGuards" 9 ∈ TB := mTB 42 (by decide +kernel) (by decide +kernel)
theorem ini_X8 : Cond.initialized "HallGuards" ∈ TB := mTB 23 (by decide +kernel) (by decide +kernel)
theorem ml_L_268 : Cond.methodLink "HallGuardsLaw" 268 yX8_init ∈ TB := mTB 43 (by decide +kernel) (by decide +kernel)
theorem im_X8_init : Cond.instanceMethod yX8_init ∈ TB := mTB 44 (by decide +kernel) (by decide +kernel)
theorem cf_X8_init : CF yX8_init cX8_init 2 none 0 := ⟨mTB 45 (by decide +kernel) (by decide +kernel), mTB 23 (by decide +kernel) (by decide +kernel), by decide +kernel, by decide +kernel, by decide +kernel⟩
end LINKS
