/-! the words of each throw -/
set_option maxRecDepth 20000 in
theorem hat_RX12_135 : ∀ w ∈ vx_at0 RX12 135 "java/lang/IllegalArgumentException" ["java/lang/RuntimeException", "java/lang/Exception"], w ∈ bt ∨ w ∈ nb := by
  intro w hw
  have h1 : ∀ w ∈ vx_at0 RX12 135 "java/lang/IllegalArgumentException" ["java/lang/RuntimeException", "java/lang/Exception"], w ∈ lw_tbl ∧ (goodWord w = true ∨ isNest w = true) := by decide +kernel
  obtain ⟨g1, g2 | g2⟩ := h1 w hw
  · exact Or.inl (in_bt g1 g2)
  · exact Or.inr (in_nb g1 g2)
set_option maxRecDepth 20000 in
theorem hat_RX12_195 : ∀ w ∈ vx_at0 RX12 195 "java/lang/IndexOutOfBoundsException" ["java/lang/RuntimeException", "java/lang/Exception"], w ∈ bt ∨ w ∈ nb := by
  intro w hw
  have h1 : ∀ w ∈ vx_at0 RX12 195 "java/lang/IndexOutOfBoundsException" ["java/lang/RuntimeException", "java/lang/Exception"], w ∈ lw_tbl ∧ (goodWord w = true ∨ isNest w = true) := by decide +kernel
  obtain ⟨g1, g2 | g2⟩ := h1 w hw
  · exact Or.inl (in_bt g1 g2)
  · exact Or.inr (in_nb g1 g2)
set_option maxRecDepth 20000 in
theorem hat_RX12_305 : ∀ w ∈ vx_at0 RX12 305 "java/util/NoSuchElementException" ["java/lang/RuntimeException", "java/lang/Exception"], w ∈ bt ∨ w ∈ nb := by
  intro w hw
  have h1 : ∀ w ∈ vx_at0 RX12 305 "java/util/NoSuchElementException" ["java/lang/RuntimeException", "java/lang/Exception"], w ∈ lw_tbl ∧ (goodWord w = true ∨ isNest w = true) := by decide +kernel
  obtain ⟨g1, g2 | g2⟩ := h1 w hw
  · exact Or.inl (in_bt g1 g2)
  · exact Or.inr (in_nb g1 g2)
set_option maxRecDepth 20000 in
theorem hat_RX12_333 : ∀ w ∈ vx_at0 RX12 333 "java/lang/IllegalStateException" ["java/lang/RuntimeException", "java/lang/Exception"], w ∈ bt ∨ w ∈ nb := by
  intro w hw
  have h1 : ∀ w ∈ vx_at0 RX12 333 "java/lang/IllegalStateException" ["java/lang/RuntimeException", "java/lang/Exception"], w ∈ lw_tbl ∧ (goodWord w = true ∨ isNest w = true) := by decide +kernel
  obtain ⟨g1, g2 | g2⟩ := h1 w hw
  · exact Or.inl (in_bt g1 g2)
  · exact Or.inr (in_nb g1 g2)
