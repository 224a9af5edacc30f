theorem oK_all : ∀ m, m < 26 → ∀ v, v < 25 → oK m v = true := by decide +kernel
