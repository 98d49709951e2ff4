/-! the bytes of two of the JDK's methods (their numbers by this claim's Statement) -/
abbrev xb_ci : ByteArray := prog_19_method_155_code
abbrev xb_pci : ByteArray := prog_24_method_11_code
def xy_ci : MethodName := ⟨"java/lang/String", "checkIndex", "(II)V"⟩
def xy_pci : MethodName := ⟨"jdk/internal/util/Preconditions", "checkIndex", "(IILjava/util/function/BiFunction;)I"⟩
theorem xd_ci_0 : decode xb_ci 0 = .ok (.iload_n 0, 1) := by decide +kernel
theorem xd_ci_1 : decode xb_ci 1 = .ok (.iload_n 1, 1) := by decide +kernel
theorem xd_ci_2 : decode xb_ci 2 = .ok (.getstatic 1053, 3) := by decide +kernel
theorem xd_ci_5 : decode xb_ci 5 = .ok (.invokestatic 1059, 3) := by decide +kernel
theorem xd_ci_8 : decode xb_ci 8 = .ok (.pop, 1) := by decide +kernel
theorem xd_ci_9 : decode xb_ci 9 = .ok (.return_, 1) := by decide +kernel
theorem xd_pci_0 : decode xb_pci 0 = .ok (.iload_n 0, 1) := by decide +kernel
theorem xd_pci_1 : decode xb_pci 1 = .ok (.ifCond .lt 8, 3) := by decide +kernel
theorem xd_pci_4 : decode xb_pci 4 = .ok (.iload_n 0, 1) := by decide +kernel
theorem xd_pci_5 : decode xb_pci 5 = .ok (.iload_n 1, 1) := by decide +kernel
theorem xd_pci_6 : decode xb_pci 6 = .ok (.if_icmp .lt 10, 3) := by decide +kernel
theorem xd_pci_16 : decode xb_pci 16 = .ok (.iload_n 0, 1) := by decide +kernel
theorem xd_pci_17 : decode xb_pci 17 = .ok (.ireturn, 1) := by decide +kernel
