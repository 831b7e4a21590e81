section LINKS
variable {p : Program} {l : Launch} {e : Env} {R : Room} {s : State} {m : MethodId} {args : Array Value} {below : List Frame} {meth : Method} {c : Code} {H H0 : Heap} {locs : List Loc} {cells slots : Nat} {Q : State → Prop} {cc : ByteArray} {pc : Nat} {ls : Array Slot} {rest : List Value} {g : GE} {ws : va_W} {A : Nat → Prop} {a : Nat} {fs : List Value}
theorem cl_L_8 : Cond.classLink "HallGuardsLaw" 8 "HallGuards" ∈ TB := mTB 73 (by decide +kernel) (by decide +kernel)
theorem ins_X8 : Cond.instantiable "HallGuards" 9 ∈ TB := mTB 74 (by decide +kernel) (by decide +kernel)
theorem ini_X8 : Cond.initialized "HallGuards" ∈ TB := mTB 52 (by decide +kernel) (by decide +kernel)
theorem cl_L_113 : Cond.classLink "HallGuardsLaw" 113 "HallGuardsModel" ∈ TB := mTB 1058 (by decide +kernel) (by decide +kernel)
theorem ins_X9 : Cond.instantiable "HallGuardsModel" 20 ∈ TB := mTB 1059 (by decide +kernel) (by decide +kernel)
theorem ini_X9 : Cond.initialized "HallGuardsModel" ∈ TB := mTB 62 (by decide +kernel) (by decide +kernel)
theorem ml_L_112 : Cond.methodLink "HallGuardsLaw" 112 yX8_init ∈ TB := mTB 75 (by decide +kernel) (by decide +kernel)
theorem im_X8_init : Cond.instanceMethod yX8_init ∈ TB := mTB 76 (by decide +kernel) (by decide +kernel)
theorem ml_L_115 : Cond.methodLink "HallGuardsLaw" 115 yX9_init ∈ TB := mTB 1060 (by decide +kernel) (by decide +kernel)
theorem im_X9_init : Cond.instanceMethod yX9_init ∈ TB := mTB 1061 (by decide +kernel) (by decide +kernel)
theorem cf_X8_init : CF yX8_init cX8_init 2 none 0 := ⟨mTB 77 (by decide +kernel) (by decide +kernel), mTB 52 (by decide +kernel) (by decide +kernel), by decide +kernel, by decide +kernel, by decide +kernel⟩
theorem cf_X9_init : CF yX9_init cX9_init 2 none 0 := ⟨mTB 1062 (by decide +kernel) (by decide +kernel), mTB 62 (by decide +kernel) (by decide +kernel), by decide +kernel, by decide +kernel, by decide +kernel⟩
end LINKS
