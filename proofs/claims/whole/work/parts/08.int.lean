set_option maxRecDepth 100000 in
theorem inT0 : ∀ w ∈ u_ws RX0 TX0 3, w ∈ gtbl := by decide +kernel
set_option maxRecDepth 100000 in
theorem inT1 : ∀ w ∈ u_ws RX1 TX1 4, w ∈ gtbl := by decide +kernel
set_option maxRecDepth 100000 in
theorem inT2 : ∀ w ∈ u_ws RX2 TX2 12, w ∈ gtbl := by decide +kernel
set_option maxRecDepth 100000 in
theorem inT4 : ∀ w ∈ u_ws RX4 TX4 5, w ∈ gtbl := by decide +kernel
set_option maxRecDepth 100000 in
theorem inT5 : ∀ w ∈ u_ws RX5 TX5 5, w ∈ gtbl := by decide +kernel
set_option maxRecDepth 100000 in
theorem inT6 : ∀ w ∈ u_ws RX6 TX6 5, w ∈ gtbl := by decide +kernel
set_option maxRecDepth 100000 in
theorem inT7 : ∀ w ∈ u_ws RX7 TX7 3, w ∈ gtbl := by decide +kernel
set_option maxRecDepth 100000 in
theorem inT8 : ∀ w ∈ u_ws RX8 TX8 5, w ∈ gtbl := by decide +kernel
set_option maxRecDepth 100000 in
theorem inT9 : ∀ w ∈ u_ws RX9 TX9 5, w ∈ gtbl := by decide +kernel
set_option maxRecDepth 100000 in
theorem inT10 : ∀ w ∈ u_ws RX10 TX10 3, w ∈ gtbl := by decide +kernel
set_option maxRecDepth 100000 in
theorem inT11 : ∀ w ∈ u_ws RX11 TX11 17, w ∈ gtbl := by decide +kernel
set_option maxRecDepth 100000 in
theorem inT12 : ∀ w ∈ u_ws RX12 TX12 45, w ∈ gtbl := by decide +kernel
