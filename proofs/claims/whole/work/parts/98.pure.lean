theorem es_pure : es_PURE := sorry
