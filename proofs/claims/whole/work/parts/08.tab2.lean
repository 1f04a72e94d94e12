theorem k_max : Cond.code Lib.Math.max.name Lib.Math.max.code 2 (some .int) ∈ uW ∧ Cond.static Lib.Math.max.name ∈ uW ∧ Cond.initialized "java/lang/Math" ∈ uW := ⟨uT 288 (by decide +kernel) rfl, uT 287 (by decide +kernel) rfl, uT 9 (by decide +kernel) rfl⟩
theorem k_min : Cond.code Lib.Math.min.name Lib.Math.min.code 2 (some .int) ∈ uW ∧ Cond.static Lib.Math.min.name ∈ uW ∧ Cond.initialized "java/lang/Math" ∈ uW := ⟨uT 248 (by decide +kernel) rfl, uT 247 (by decide +kernel) rfl, uT 9 (by decide +kernel) rfl⟩
theorem k_copy : Cond.native arraycopyName ∈ uW ∧ Cond.static arraycopyName ∈ uW ∧ Cond.initialized "java/lang/System" ∈ uW := ⟨uT 198 (by decide +kernel) rfl, uT 197 (by decide +kernel) rfl, uT 7 (by decide +kernel) rfl⟩
theorem lRX5_294 : Cond.methodLink RX5 294 arraycopyName ∈ uW := uT 579 (by decide +kernel) rfl
theorem lRX0_30 : Cond.methodLink RX0 30 arraycopyName ∈ uW := uT 196 (by decide +kernel) rfl
