/-! THE LAW'S OWN WALK: words -/
theorem n_35 : Cond.methodLink RL 187 yL_net ∈ gT := gT_t 35 (by decide +kernel) rfl
theorem n_36 : Cond.static yL_net ∈ gT := gT_t 36 (by decide +kernel) rfl
set_option maxRecDepth 100000 in
theorem n_37 : Cond.code yL_net cL_net 9 (some .boolean) ∈ gT := gT_t 37 (by rfl) rfl
theorem n_38 : Cond.classLink RL 11 RX11 ∈ gT := gT_t 38 (by decide +kernel) rfl
theorem n_39 : Cond.instantiable RX11 9 ∈ gT := gT_t 39 (by decide +kernel) rfl
theorem n_40 : Cond.methodLink RL 163 yX11_init ∈ gT := gT_t 40 (by decide +kernel) rfl
theorem n_41 : Cond.instanceMethod yX11_init ∈ gT := gT_t 41 (by decide +kernel) rfl
theorem n_42 : Cond.code yX11_init cX11_init 2 none ∈ gT := gT_t 42 (by decide +kernel) rfl
theorem n_300 : Jvm.Cond.constant RL 164 1073741824 ∈ gT := gT_t 300 (by decide +kernel) rfl
theorem n_301 : Cond.methodLink RL 165 yL_draw ∈ gT := gT_t 301 (by decide +kernel) rfl
theorem n_302 : Cond.static yL_draw ∈ gT := gT_t 302 (by decide +kernel) rfl
theorem n_303 : Cond.code yL_draw cL_draw 4 (some .int) ∈ gT := gT_t 303 (by decide +kernel) rfl
theorem n_307 : Cond.methodLink RL 169 yL_step ∈ gT := gT_t 307 (by decide +kernel) rfl
theorem n_308 : Cond.static yL_step ∈ gT := gT_t 308 (by decide +kernel) rfl
set_option maxRecDepth 100000 in
theorem n_309 : Cond.code yL_step cL_step 7 (some .boolean) ∈ gT := gT_t 309 (by rfl) rfl
theorem n_893 : Cond.methodLink RL 172 yL_areLegs ∈ gT := gT_t 893 (by decide +kernel) rfl
theorem n_894 : Cond.static yL_areLegs ∈ gT := gT_t 894 (by decide +kernel) rfl
set_option maxRecDepth 100000 in
theorem n_895 : Cond.code yL_areLegs cL_areLegs 12 (some .boolean) ∈ gT := gT_t 895 (by rfl) rfl
theorem n_941 : Cond.methodLink RL 176 yL_isWhole ∈ gT := gT_t 941 (by decide +kernel) rfl
theorem n_942 : Cond.static yL_isWhole ∈ gT := gT_t 942 (by decide +kernel) rfl
set_option maxRecDepth 100000 in
theorem n_943 : Cond.code yL_isWhole cL_isWhole 8 (some .boolean) ∈ gT := gT_t 943 (by rfl) rfl
theorem n_960 : Cond.methodLink RL 180 yL_areCalls ∈ gT := gT_t 960 (by decide +kernel) rfl
theorem n_961 : Cond.static yL_areCalls ∈ gT := gT_t 961 (by decide +kernel) rfl
set_option maxRecDepth 100000 in
theorem n_962 : Cond.code yL_areCalls cL_areCalls 9 (some .boolean) ∈ gT := gT_t 962 (by rfl) rfl
theorem n_967 : Cond.methodLink RL 184 yL_isLine ∈ gT := gT_t 967 (by decide +kernel) rfl
theorem n_968 : Cond.static yL_isLine ∈ gT := gT_t 968 (by decide +kernel) rfl
set_option maxRecDepth 100000 in
theorem n_969 : Cond.code yL_isLine cL_isLine 7 (some .boolean) ∈ gT := gT_t 969 (by rfl) rfl
theorem nh_yL_draw : yL_draw.cls = RL ∧ yL_draw.cls ≠ "java/lang/invoke/MethodHandle" ∧ yL_draw.cls ≠ "java/lang/invoke/VarHandle" ∧ (parseMethodDescriptor yL_draw.desc).map (fun d => d.parameters.length) = some 3 := by decide +kernel
theorem nh_yL_step : yL_step.cls = RL ∧ yL_step.cls ≠ "java/lang/invoke/MethodHandle" ∧ yL_step.cls ≠ "java/lang/invoke/VarHandle" ∧ (parseMethodDescriptor yL_step.desc).map (fun d => d.parameters.length) = some 7 := by decide +kernel
theorem nh_yL_areLegs : yL_areLegs.cls = RL ∧ yL_areLegs.cls ≠ "java/lang/invoke/MethodHandle" ∧ yL_areLegs.cls ≠ "java/lang/invoke/VarHandle" ∧ (parseMethodDescriptor yL_areLegs.desc).map (fun d => d.parameters.length) = some 4 := by decide +kernel
theorem nh_yL_isWhole : yL_isWhole.cls = RL ∧ yL_isWhole.cls ≠ "java/lang/invoke/MethodHandle" ∧ yL_isWhole.cls ≠ "java/lang/invoke/VarHandle" ∧ (parseMethodDescriptor yL_isWhole.desc).map (fun d => d.parameters.length) = some 2 := by decide +kernel
theorem nh_yL_areCalls : yL_areCalls.cls = RL ∧ yL_areCalls.cls ≠ "java/lang/invoke/MethodHandle" ∧ yL_areCalls.cls ≠ "java/lang/invoke/VarHandle" ∧ (parseMethodDescriptor yL_areCalls.desc).map (fun d => d.parameters.length) = some 3 := by decide +kernel
theorem nh_yL_isLine : yL_isLine.cls = RL ∧ yL_isLine.cls ≠ "java/lang/invoke/MethodHandle" ∧ yL_isLine.cls ≠ "java/lang/invoke/VarHandle" ∧ (parseMethodDescriptor yL_isLine.desc).map (fun d => d.parameters.length) = some 3 := by decide +kernel
theorem nh_yL_net : yL_net.cls = RL ∧ yL_net.cls ≠ "java/lang/invoke/MethodHandle" ∧ yL_net.cls ≠ "java/lang/invoke/VarHandle" ∧ (parseMethodDescriptor yL_net.desc).map (fun d => d.parameters.length) = some 2 := by decide +kernel
