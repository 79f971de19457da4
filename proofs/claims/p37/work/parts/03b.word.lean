set_option maxRecDepth 100000 in
set_option maxHeartbeats 1000000 in
theorem m_638 : Cond.code ⟨"IharaZetaLaw","known","(LIharaZeta;)Z"⟩ method_12_code 1 (some FieldType.boolean) ∈ tbG := tbG_in (List.mem_of_getElem? (i := 638) (by first | exact rfl | decide +kernel)) rfl
