/-! The words of the three exceptions -/
theorem xA_IAE : ∀ a ∈ Bundle.ownAtoms0 "BrokerTree" 85 "java/lang/IllegalArgumentException" ["java/lang/RuntimeException", "java/lang/Exception"], xA3 a := by
  unfold xA3
  decide +kernel
theorem xA_ISE : ∀ a ∈ Bundle.ownAtoms0 "BrokerTree" 91 "java/lang/IllegalStateException" ["java/lang/RuntimeException", "java/lang/Exception"], xA3 a := by
  unfold xA3
  decide +kernel
theorem xA_NSE : ∀ a ∈ Bundle.ownAtoms0 "BrokerTree" 106 "java/util/NoSuchElementException" ["java/lang/RuntimeException", "java/lang/Exception"], xA3 a := by
  unfold xA3
  decide +kernel

